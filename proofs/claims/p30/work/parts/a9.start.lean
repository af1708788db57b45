/-! LEVEL 2: constructors, fifth: the reference's; THE START: the relation holds behind both constructors -/
def g0 : NW := fun c _ j => if c = 6 then (if j = 0 then 6 else if j = 1 then 5 else if j = 2 then 4 else if j = 3 then 2 else 0) else if c = 4 then (if j = 6 then 15 else 0) else 0
section CTM
variable {σ : SG} {n m : Nat} {c : Nat → CE}
theorem cMn_net1 {k j : Nat} (hk : k < 3) (hj : j < 36) : cMn n (1 + 36 * k + j) = netC (n + (1 + 36 * k)) w0 j := by
  unfold cMn
  rcases (show k = 0 ∨ k = 1 ∨ k = 2 by omega) with rfl | rfl | rfl
  · rw [if_neg (by omega), if_pos (by omega), show 1 + 36 * 0 + j - 1 = j by omega]
  · rw [if_neg (by omega), if_neg (by omega), if_pos (by omega), show 1 + 36 * 1 + j - 37 = j by omega]
  · rw [if_neg (by omega), if_neg (by omega), if_neg (by omega), if_pos (by omega), show 1 + 36 * 2 + j - 73 = j by omega]
theorem cMn_net3 {k j : Nat} (h3 : 3 ≤ k) (hk : k < 7) (hj : j < 36) : cMn n (3 + 36 * k + j) = netC (n + (3 + 36 * k)) w0 j := by
  unfold cMn
  rw [if_neg (by omega), if_neg (by omega), if_neg (by omega), if_neg (by omega), if_pos (by omega)]
  unfold cHp
  rw [if_neg (by omega), if_neg (by omega), show (3 + 36 * k + j - 109 - 2) / 36 = k - 3 by omega, show (3 + 36 * k + j - 109 - 2) % 36 = j by omega, show n + 109 + 2 + 36 * (k - 3) = n + (3 + 36 * k) by omega]
theorem Rel_00 : Rel g0 w0 := by
  refine ⟨⟨fun _ _ => rfl, fun _ _ => rfl, fun _ _ => rfl, fun _ _ => rfl, fun _ _ _ => rfl, fun _ _ _ _ => rfl, fun i j h => ?_⟩, fun i _ => ⟨rfl, rfl, fun h => absurd h (by show ¬ (0 : Int32) = 1; decide), Or.inl ⟨rfl, rfl⟩, rfl, rfl, fun _ => ⟨rfl, rfl⟩⟩⟩
  rcases h with h | h
  · show (if j = 3 then (2 : Int32) else 0) = 0
    rw [if_neg h]
  · exact absurd h (by show ¬ (0 : Int32) = 1; decide)
theorem Inv_00 : Inv g0 := by
  refine ⟨fun i _ => ⟨Or.inl rfl, Or.inl rfl, fun h => absurd h (by show ¬ (0 : Int32) = 1; decide)⟩, fun i _ => ⟨Or.inl rfl, Or.inl rfl, fun h => absurd h (by show ¬ (0 : Int32) = 1; decide)⟩, fun i _ => ⟨Or.inl rfl, Or.inl rfl⟩, fun i _ => ⟨Or.inl rfl, ⟨0, by decide, rfl⟩, ⟨15, by decide, rfl⟩⟩⟩
end CTM



