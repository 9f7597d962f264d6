/-! the law from its entry (laid by wip/whole/end.py) -/
section BEG
variable {F : Nat}
theorem i_4 : (0 : Int) ≤ 0 ∧ (0 : Int) ≤ 4 := by decide
theorem ui_00 : ui (fun _ => 0) 0 0 = (fun _ => (0 : Int)) := ui_z rfl
theorem fl_b (i : Int) : -1 ≤ (fun (i : Int) => if 0 ≤ i ∧ i < ((144 : Nat) : Int) then -1 else 0) i ∧ (fun (i : Int) => if 0 ≤ i ∧ i < ((144 : Nat) : Int) then -1 else 0) i < 1 := by
  show -1 ≤ (if 0 ≤ i ∧ i < ((144 : Nat) : Int) then (-1 : Int) else 0) ∧ (if 0 ≤ i ∧ i < ((144 : Nat) : Int) then (-1 : Int) else 0) < 1
  by_cases h : 0 ≤ i ∧ i < ((144 : Nat) : Int)
  · rw [if_pos h]; decide
  · rw [if_neg h]; decide
theorem fr_b (i : Int) : -2147483648 ≤ (fun (i : Int) => if 3 * (0 : Int) ≤ i ∧ i < 3 * (0 : Int) + 3 then -2147483648 else 0) i ∧ (fun (i : Int) => if 3 * (0 : Int) ≤ i ∧ i < 3 * (0 : Int) + 3 then -2147483648 else 0) i < 1 := by
  show -2147483648 ≤ (if 3 * (0 : Int) ≤ i ∧ i < 3 * (0 : Int) + 3 then (-2147483648 : Int) else 0) ∧ (if 3 * (0 : Int) ≤ i ∧ i < 3 * (0 : Int) + 3 then (-2147483648 : Int) else 0) < 1
  by_cases h : 3 * (0 : Int) ≤ i ∧ i < 3 * (0 : Int) + 3
  · rw [if_pos h]; decide
  · rw [if_neg h]; decide
theorem inN_0 : InvN 1 1000 500 (fun _ => 0) (fun _ => 0) (fun (i : Int) => if 0 ≤ i ∧ i < ((144 : Nat) : Int) then -1 else 0) (fun _ => 0) (fun _ => 0) (fun _ => 0) (fun _ => 0) (fun _ => 0) (fun _ => 0) (fun _ => 0) (fun _ => 0) (fun _ => 0) :=
  ⟨by omega, by omega, rfl, fun _ => by show (0 : Int) ≤ 0 ∧ (0 : Int) ≤ 4; decide, fun _ h => absurd rfl h, fun _ => by show (0 : Int) ≤ 0 ∧ (0 : Int) ≤ 3; decide,
   fun _ => ⟨fun _ => rfl, fun h => absurd h (show ¬ (0 : Int) = 2 by decide), fun h => absurd h (show ¬ (0 : Int) = 3 by decide), fun h => absurd h (show ¬ (0 : Int) = 4 by decide)⟩, fl_b, fun _ _ => (show ¬ (0 : Int) = 4 by decide),
   fun _ => by show (0 : Int) ≤ 0 ∧ (0 : Int) ≤ 0 ∧ (0 : Int) ≤ 10000; decide, fun _ => by show (0 : Int) ≤ 0 ∧ (0 : Int) ≤ 2; decide, fun _ => by show (0 : Int) ≤ 0 ∧ (0 : Int) ≤ 0 ∧ (0 : Int) ≤ 10000; decide, fun _ => by show (-1000000 : Int) ≤ 0 ∧ (0 : Int) ≤ 0 ∧ (0 : Int) ≤ 1000000; decide, fun _ => by show (-10000 : Int) ≤ 0 ∧ (0 : Int) ≤ 10000; decide, fun _ => by show (-10000 : Int) ≤ 0 ∧ (0 : Int) ≤ 10000; decide⟩
theorem inM_0 : InvM 1 1000 500 (fun _ => 0) (fun _ => 0) (fun (i : Int) => if 0 ≤ i ∧ i < ((144 : Nat) : Int) then -1 else 0) (fun _ => 0) (fun _ => 0) (fun _ => 0) (fun _ => 0) (fun _ => 0) (fun _ => 0) (fun _ => 0) (fun _ => 0) (fun _ => 0) 1000 500 1 (fun _ => 0) (fun _ => 0) (fun (i : Int) => if 3 * (0 : Int) ≤ i ∧ i < 3 * (0 : Int) + 3 then -2147483648 else 0) (fun _ => 0) (fun _ => 0) (fun _ => 0) (fun _ => 0) (fun _ => 0) (fun _ => 0) (fun _ => 0) :=
  ⟨⟨rfl, rfl, rfl⟩, ⟨rfl, rfl, rfl, rfl, rfl⟩, fun i a b => Or.inl ⟨if_pos ⟨a, by omega⟩, if_pos ⟨by omega, by omega⟩⟩, fr_b, fun i h => ⟨rfl, rfl, rfl, fun h2 => if_pos ⟨by omega, by omega⟩⟩, fun _ _ => ⟨rfl, rfl, rfl, rfl⟩, fun _ _ => ⟨rfl, rfl, rfl, rfl, rfl, rfl⟩,
   fun _ _ => ⟨rfl, rfl⟩, fun _ _ _ _ => ⟨rfl, rfl⟩, fun _ => by show (0 : Int) ≤ 0 ∧ (0 : Int) ≤ 0 ∧ (0 : Int) ≤ 10000; decide, fun _ _ => ⟨rfl, rfl⟩, fun _ _ => ⟨rfl, rfl⟩, fun _ => by show (-1000000 : Int) ≤ 0 ∧ (0 : Int) ≤ 1000000 ∧ (-1000000 : Int) ≤ 0 ∧ (0 : Int) ≤ 1000000; decide⟩
theorem inv_0 : Inv F (x_0 (fun (i : Int) => if 0 ≤ i ∧ i < ((144 : Nat) : Int) then -1 else 0) (ui (fun _ => 0) 0 0) (ui (fun _ => 0) 0 0) (fun (i : Int) => if 3 * (0 : Int) ≤ i ∧ i < 3 * (0 : Int) + 3 then -2147483648 else 0) (fun _ => 0) (fun _ => 0) (fun _ => 0) (fun _ => 0) (fun _ => 0) (fun _ => 0) (fun _ => 0)) := by
  unfold x_0
  rw [Inv_mk, ui_00]
  exact ⟨inN_0, inM_0, by omega, rfl, Or.inl rfl⟩
theorem sc_b (xs : Nat → Int32) (j : Int) : -2147483648 ≤ scI xs j ∧ scI xs j ≤ 2147483647 := by
  have h1 := Int32.le_toInt (xs j.toNat)
  have h2 := Int32.toInt_lt (xs j.toNat)
  show -2147483648 ≤ (xs j.toNat).toInt ∧ (xs j.toNat).toInt ≤ 2147483647
  omega
theorem step_all {x : St} {i v : Int} {L : Nat} {xs : Nat → Int32} (hF : 10 ^ 160 ≤ F) (hi : 0 ≤ i) (hiL : i + 6 ≤ L) (hI : Inv F x) : Step (Inv F) F i L (scI xs) x v :=
  have hF2 : 200 ≤ F := Nat.le_trans (by decide) hF
  have hs := sc_b xs
  ⟨fun _ => do_0 hF2 hI hi hiL hs, fun _ => do_1 hF2 hI hi hiL hs, fun _ => do_2 hF2 hI hi hiL hs, fun _ => do_3 hF2 hI hi hiL hs, fun _ => do_4 hF2 hI hi hiL hs, fun _ => do_5 hF2 hI hi hiL hs, fun _ => do_6 hF2 hI hi hiL hs, fun _ => do_7 hF2 hI hi hiL hs, fun _ => do_8 hF2 hI hi hiL hs, fun _ => do_9 hF hI, fun _ => do_10 hF2 hI hi hiL hs, fun _ => do_11 hF2 hI hi hiL hs, fun _ => do_12 hF2 hI hi hiL hs, fun _ => do_13 hF2 hI hi hiL hs, fun _ => do_14 hF2 hI hi hiL hs, fun _ => do_15 hF2 hI hi hiL hs, fun _ => do_16 hF2 hI hi hiL hs, fun _ => do_17 hF2 hI hi hiL hs, fun _ => do_18 hF2 hI hi hiL hs, fun _ => do_19 hF2 hI hi hiL hs⟩
end BEG
