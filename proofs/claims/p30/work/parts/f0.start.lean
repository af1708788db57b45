/-! p30: a fresh object -/
theorem ST_start {σ : SG} {n : Nat} : ST n (OL σ n 257 (cMn n)) 0 g0 none none := by
  have lo : ∀ q, q < 257 → (OL σ n 257 (cMn n)).1 (n + q) = some (cMn n q) := fun q hq => OL_at hq
  refine ⟨fun _ => w0, fun k => k + 3, 0, 0, ⟨rfl, fun k hk j hj => ?_, lo 0 (by decide), lo 109 (by decide), ?_⟩, Rel_00, Inv_00, ⟨rfl, ⟨2, by decide, by decide, rfl⟩, fun i _ h => absurd h (by show ¬ (0 : Int32) = 1; decide), fun i _ h => absurd h (by show ¬ (0 : Int32) = 1; decide), fun i _ => ⟨fun _ => by show ¬ (0 : Int32) = 14; decide, fun h => absurd rfl h⟩⟩, ⟨fun i hi => ⟨by show 3 ≤ i + 3; omega, by show i + 3 < 7; omega⟩, fun i _ j _ h => by have h : i + 3 = j + 3 := h; omega⟩, Nat.zero_le _, fun k hk => absurd hk (Nat.not_lt_zero k), rfl, rfl⟩
  · by_cases h3 : k < 3
    · rw [show NA n k = n + (1 + 36 * k) from if_pos h3, ← cMn_net1 h3 hj, ← lo _ (by omega), Nat.add_assoc]
    · rw [show NA n k = n + (3 + 36 * k) from if_neg h3, ← cMn_net3 (by omega) hk hj, ← lo _ (by omega), Nat.add_assoc]
  · refine (lo 110 (by decide)).trans (congrArg some ?_)
    show cHp (n + 109) 4 1 = _
    unfold cHp cHA
    rw [if_neg (by decide), if_pos rfl]
    refine congrArg (fun f => (Sum.inr (5, 4, Sum.inr f) : CE)) (funext fun i => ?_)
    by_cases hi : i < 4
    · rw [if_pos hi, if_pos hi]
      show _ = some (NA n (i + 3))
      unfold NA
      rw [if_neg (by omega), show n + 109 + 2 + 36 * i = n + (3 + 36 * (i + 3)) by omega]
    · rw [if_neg hi, if_neg hi]
