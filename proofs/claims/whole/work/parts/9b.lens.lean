/-! how many timing paths the lists are made of -/
section LEN
variable {F : Nat} {kd pn so se wE wL gE gL sE sL su ho fo sc fr dM dN : Int → Int} {size per wid : Int} {Of : Int → List (Option (Int × List Int))}
theorem flat_sum {β : Type} {f : Int → List β} : ∀ v : Nat, ((((pinl v).flatMap f).length : Nat) : Int) = sumN (fun n => ((f n).length : Int)) v := by
  intro v
  induction v with
  | zero => rfl
  | succ v ih =>
    rw [show ((v + 1 : Nat) : Int) = (v : Int) + 1 by omega, pinl_succ (by omega), List.flatMap_append, List.flatMap_cons, List.flatMap_nil, List.append_nil, List.length_append]
    show _ = sumN (fun n => ((f n).length : Int)) v + ((f v).length : Int)
    rw [← ih]
    omega
theorem Z0_len {n m c L : Int} {T : List Int} {xw : Int × List Int} {Os Os' : List (Option (Int × List Int))} : (Z0 wE wL gE gL sL su per wid n m c Os Os' L T xw).length = Os.length * Os'.length := by
  unfold Z0
  exact flat_rep _ (fun o _ => by rw [List.length_map])
theorem Z1_len {n m c E : Int} {T : List Int} {xw : Int × List Int} {Os Os' : List (Option (Int × List Int))} : (Z1 wE wL gE gL sE ho per wid n m c Os Os' E T xw).length = Os.length * Os'.length := by
  unfold Z1
  exact flat_rep _ (fun o _ => by rw [List.length_map])
theorem Ec0_len {n m c : Int} : (Ec0 kd pn so se wE wL gE gL sL su per wid Of n m c).length = (DW kd pn so se n (2 * so (3 * m) + c)).length * ((Of n).length * (Of m).length) := flat_rep _ (fun _ _ => Z0_len)
theorem Ec1_len {n m c : Int} : (Ec1 kd pn so se wE wL gE gL sE ho per wid Of n m c).length = (DW kd pn so se n (2 * so (3 * m) + c)).length * ((Of n).length * (Of m).length) := flat_rep _ (fun _ _ => Z1_len)
theorem np_cast (a b n m : Nat) : ((a * (n * m) + b * (n * m) : Nat) : Int) = ((a : Int) * (n : Int) + (b : Int) * (n : Int)) * (m : Int) := by
  rw [Int.natCast_add, Int.natCast_mul, Int.natCast_mul, Int.natCast_mul, Int.natCast_mul, Int.add_mul, Int.mul_assoc, Int.mul_assoc]
theorem Em0_len (hOf : ∀ n, 0 ≤ n → n < size → List.Perm (Of n) (wys kd pn so se n)) {n m : Int} (hn : 0 ≤ n ∧ n < size) (hm : 0 ≤ m ∧ m < size) : ((Em0 kd pn so se wE wL gE gL sL su per wid Of n m).length : Int) = npth kd pn so se n m := by
  unfold Em0 npth
  by_cases q : (kd m = 4 ∨ kd m = 3) ∧ 0 ≤ so (3 * m)
  · rw [if_pos q, if_pos q, List.length_append, Ec0_len, Ec0_len, (hOf n hn.1 hn.2).length_eq, (hOf m hm.1 hm.2).length_eq]
    exact np_cast _ _ _ _
  · rw [if_neg q, if_neg q]; rfl
theorem Em1_len (hOf : ∀ n, 0 ≤ n → n < size → List.Perm (Of n) (wys kd pn so se n)) {n m : Int} (hn : 0 ≤ n ∧ n < size) (hm : 0 ≤ m ∧ m < size) : ((Em1 kd pn so se wE wL gE gL sE ho per wid Of n m).length : Int) = npth kd pn so se n m := by
  unfold Em1 npth
  by_cases q : (kd m = 4 ∨ kd m = 3) ∧ 0 ≤ so (3 * m)
  · rw [if_pos q, if_pos q, List.length_append, Ec1_len, Ec1_len, (hOf n hn.1 hn.2).length_eq, (hOf m hm.1 hm.2).length_eq]
    exact np_cast _ _ _ _
  · rw [if_neg q, if_neg q]; rfl
theorem CT_len (hz : 1 ≤ size) (hOf : ∀ n, 0 ≤ n → n < size → List.Perm (Of n) (wys kd pn so se n)) : ((CT0 kd pn so se wE wL gE gL sL su size per wid Of size).length : Int) = sumN (nbeg kd pn so se size) size.toNat ∧ ((CT1 kd pn so se wE wL gE gL sE ho size per wid Of size).length : Int) = sumN (nbeg kd pn so se size) size.toNat := by
  have e : ((size.toNat : Nat) : Int) = size := by omega
  constructor
  · unfold CT0
    have h := flat_sum (f := fun n => if kd n = 1 ∨ kd n = 3 then C0 kd pn so se wE wL gE gL sL su size per wid Of n else []) size.toNat
    rw [e] at h
    rw [h]
    refine sumN_cg size.toNat (fun n n1 n2 => ?_)
    unfold nbeg
    by_cases q : kd n = 1 ∨ kd n = 3
    · rw [if_pos q, if_pos q, C0_m]
      have h2 := flat_sum (f := Em0 kd pn so se wE wL gE gL sL su per wid Of n) size.toNat
      rw [e] at h2
      rw [h2]
      exact sumN_cg size.toNat (fun m m1 m2 => Em0_len hOf ⟨n1, by omega⟩ ⟨m1, by omega⟩)
    · rw [if_neg q, if_neg q]; rfl
  · unfold CT1
    have h := flat_sum (f := fun n => if kd n = 1 ∨ kd n = 3 then C1 kd pn so se wE wL gE gL sE ho size per wid Of n else []) size.toNat
    rw [e] at h
    rw [h]
    refine sumN_cg size.toNat (fun n n1 n2 => ?_)
    unfold nbeg
    by_cases q : kd n = 1 ∨ kd n = 3
    · rw [if_pos q, if_pos q, C1_m]
      have h2 := flat_sum (f := Em1 kd pn so se wE wL gE gL sE ho per wid Of n) size.toNat
      rw [e] at h2
      rw [h2]
      exact sumN_cg size.toNat (fun m m1 m2 => Em1_len hOf ⟨n1, by omega⟩ ⟨m1, by omega⟩)
    · rw [if_neg q, if_neg q]; rfl
/-- what the class can tell of its lists: it can collect them, or it has them -/
def CLT (F : Nat) (kd pn so se wE wL gE gL sE sL su ho : Int → Int) (size per : Int) (el pa ln ea la c l ba e f G : Int → Int) (ocn : Int) (P0 P1 : List (Int × List Int)) : Prop :=
  ∀ (ps pe pc : Int) (tr row : Int → Int) (lm lf lh : Int) (S H Sc Se Sl : Int → Int) (y1 : Int) (y2 y3 y4 y5 : Int → Int) (b1 : Int) (b2 b3 b4 b5 : Int → Int), ok (f_WorstPaths_collect F ps pe pc 0 tr row lm lf lh S H el pa ln ea la c l ba e f Sc Se Sl ocn G per size kd pn so wE wL se gE gL sE sL su ho y1 y2 y3 y4 y5 b1 b2 b3 b4 b5) (fun r => r.2.2.2.2.2.1 = 1 ∧ CL2 r.2.2.2.2.2.2.2.2.2.2.2.2.2.2.1 r.2.2.2.2.2.2.2.2.2.2.2.2.2.2.2.1 r.2.2.2.2.2.2.2.2.2.2.2.2.2.2.2.2.1 r.2.2.2.2.2.2.2.2.2.2.2.2.2.2.2.2.2.1 r.2.2.2.2.2.2.2.2.2.2.2.2.2.2.2.2.2.2.1 r.2.2.2.2.2.2.2.2.2.2.2.2.2.2.2.2.2.2.2.1 r.2.2.2.2.2.2.2.2.2.2.2.2.2.2.2.2.2.2.2.2.1 r.2.2.2.2.2.2.2.2.2.2.2.2.2.2.2.2.2.2.2.2.2.1 r.2.2.2.2.2.2.2.2.2.2.2.2.2.2.2.2.2.2.2.2.2.2.1 r.2.2.2.2.2.2.2.2.2.2.2.2.2.2.2.2.2.2.2.2.2.2.2 P0 P1)
theorem lists_of (hF : 200 ≤ F) (hN : InvN size per wid kd pn so wE wL se gE gL sE sL su ho) (hM : InvM size per wid kd pn so wE wL se gE gL sE sL su ho per wid size kd pn fr wE wL se dM dN fo sc) {r LM LF pc sz ocn : Int} {A el pa ln ea la fi nx c l ba e f Zc Ze Zl Vc Ve Vl G lsd lsl lsz lrw : Int → Int} (hT : TNA kd pn so se wE wL gE gL sE sL su ho size per wid r A LM LF pc sz el pa ln ea la fi nx c l ba e f Zc Ze Zl Vc Ve Vl G ocn) (hpc : pc ≤ 4000) (hL : ML2 lsd lsl lsz lrw (((AL kd pn so se size 0).flatMap (ptA0 kd pn so se wE wL gE gL sE sL fo size per wid)).foldl top20 []) (((AL kd pn so se size 0).flatMap (ptA1 kd pn so se wE wL gE gL sE sL sc size per wid)).foldl top20 [])) : ∃ P0 P1, ((P0.length : Int) = min 20 pc ∧ (P1.length : Int) = min 20 pc) ∧ ML2 lsd lsl lsz lrw P0 P1 ∧ CLT F kd pn so se wE wL gE gL sE sL su ho size per el pa ln ea la c l ba e f G ocn P0 P1 := by
  obtain ⟨hcn, hfu, hCF, -, hLS, -⟩ := hT
  obtain ⟨Wd, Ch, Of, hTR, hinj, hCO⟩ := CF_of hN hfu hCF
  have hOf : ∀ n, 0 ≤ n → n < size → List.Perm (Of n) (wys kd pn so se n) := fun n a b => (hCO n a b).1
  have p0 := CT0_ref hN hM hfu hOf
  have p1 := CT1_ref hN hM hfu hOf
  have hlen := CT_len (wE := wE) (wL := wL) (gE := gE) (gL := gL) (sE := sE) (sL := sL) (su := su) (ho := ho) (per := per) (wid := wid) hN.1.1 hOf
  have hpc2 := hLS.2.2.2
  rw [← top_perm p0, ← top_perm p1] at hL
  refine ⟨_, _, ⟨?_, ?_⟩, hL, ?_⟩
  · rw [foldl_len _ _ (Nat.zero_le _)]
    show ((min (0 + _) 20 : Nat) : Int) = _
    omega
  · rw [foldl_len _ _ (Nat.zero_le _)]
    show ((min (0 + _) 20 : Nat) : Int) = _
    omega
  · intro ps pe pc' tr row lm lf lh S H Sc Se Sl y1 y2 y3 y4 y5 b1 b2 b3 b4 b5
    refine s_collect hF hN hcn hfu hTR hinj hCO (fun x hx => ?_) (fun x hx => ?_) rfl
    · obtain ⟨t, t1, t2⟩ := List.mem_flatMap.mp (p0.mem_iff.mp hx)
      exact mpe0 hN hM hfu t t1 x t2
    · obtain ⟨t, t1, t2⟩ := List.mem_flatMap.mp (p1.mem_iff.mp hx)
      exact mpe1 hN hM hfu t t1 x t2
end LEN
