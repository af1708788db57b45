/-! LEVEL 2: new words are counted upwards; pass, undo, save, restore, the text's length -/
theorem lisG_7 (g : NW) (a i j : Nat) : lisG g a 7 i j = g 7 i j := by
  unfold lisG
  rw [up3_c (by decide), up3_c (by decide), up3_c (by decide), up3_c (by decide)]
theorem up702 (g : NW) {j : Nat} (v : Int32) (hj : j ≠ 2) : up3 g 7 0 j v 7 0 2 = g 7 0 2 := by
  simp only [up3]
  rw [if_neg]
  rintro ⟨-, -, e⟩
  exact hj e.symm
theorem telG_72 (g : NW) (a : Nat) (x : Int32) : telG g a x 7 0 2 = g 7 0 2 ∨ telG g a x 7 0 2 = g 7 0 2 + 1 := by
  unfold telG
  split
  · left
    rw [up3_c (by decide), up702 _ _ (by decide)]
  · right
    rw [up3_c (by decide)]
    unfold actG
    rw [up3_c (by decide), lmpN_o _ _ _ _ _ (by decide), up3_c (by decide), up3_eq]
theorem tak1_72 (h : Nat → Int32) (g : NW) (a : Nat) : tak1 h g a 7 0 2 = g 7 0 2 ∨ tak1 h g a 7 0 2 = g 7 0 2 + 1 := by
  unfold tak1
  split
  · left; rw [up3_c (by decide), up3_c (by decide)]
  · split
    · left; rw [lisG_7, up702 _ _ (by decide), up3_c (by decide), up3_c (by decide)]
    · split
      · rw [lisG_7]
        have := telG_72 (up3 (up3 g 4 a 2 (g 4 a 2 + 1)) 4 a 3 (2 * g 4 a 3 + h a)) a (wrd (2 * g 4 a 3 + h a) 5)
        rw [up3_c (by decide), up3_c (by decide)] at this
        exact this
      · left; rw [up3_c (by decide), up3_c (by decide)]
theorem takN_72 (h : Nat → Int32) (g : NW) : ∀ k, ∃ m, m ≤ k ∧ takN h g k 7 0 2 = g 7 0 2 + nI m
  | 0 => ⟨0, by omega, by rw [← nI0, Int32.add_zero]; rfl⟩
  | k + 1 => by
    obtain ⟨m, hm, e⟩ := takN_72 h g k
    rcases tak1_72 h (takN h g k) k with h1 | h1
    · exact ⟨m, by omega, by rw [show takN h g (k + 1) = tak1 h (takN h g k) k from rfl, h1, e]⟩
    · exact ⟨m + 1, by omega, by rw [show takN h g (k + 1) = tak1 h (takN h g k) k from rfl, h1, e, nI_succ, Int32.add_assoc]⟩
theorem beatG_72 (g : NW) : ∃ m, m ≤ 6 ∧ beatG g 7 0 2 = g 7 0 2 + nI m := by
  obtain ⟨m, hm, e⟩ := takN_72 (hear (bgn g)) (movN (hear (bgn g)) (bgn g) 5) 6
  refine ⟨m, hm, ?_⟩
  unfold beatG
  rw [up3_c (by decide), e, movN_72, bgn_c _ (by decide)]
theorem itb_72 : ∀ (d : Nat) (g : NW), ∃ m, m ≤ 6 * d ∧ itb d g 7 0 2 = g 7 0 2 + nI m
  | 0, g => ⟨0, by omega, by rw [← nI0, Int32.add_zero]; rfl⟩
  | d + 1, g => by
    obtain ⟨m1, h1, e1⟩ := beatG_72 g
    obtain ⟨m2, h2, e2⟩ := itb_72 d (beatG g)
    exact ⟨m1 + m2, by omega, by rw [show itb (d + 1) g = itb d (beatG g) from rfl, e2, e1, Int32.add_assoc, nI_add]⟩
theorem add_canc {a t u : Int32} (h : a + t = a + u) : t = u := by
  have : t + a - a = u + a - a := by rw [Int32.add_comm t a, h, Int32.add_comm a u]
  rwa [Int32.add_sub_cancel, Int32.add_sub_cancel] at this
theorem lt_1 {a : Int32} : a < 1 → ¬ 1 ≤ a := fun h => Int32.not_le.mpr h
theorem rng {a lo hi : Int32} {l u : Nat} (hl : lo = nI l) (hu : hi = nI u) (bu : u < 2 ^ 31) (blu : l ≤ u) (h1 : ¬ a < lo) (h2 : ¬ hi < a) : ∃ N, a = nI N ∧ l ≤ N ∧ N ≤ u := by
  have h0 : ¬ a < 0 := by
    intro h
    apply h1
    rw [hl]
    rw [Int32.lt_iff_toInt_lt] at h ⊢
    rw [nI_toInt (by omega)]
    rw [Int32.toInt_zero] at h
    omega
  obtain ⟨j, hj, rfl⟩ := nI_of h0
  rw [hl, nI_ltI hj (by omega)] at h1
  rw [hu, nI_ltI bu hj] at h2
  exact ⟨j, rfl, by omega, by omega⟩
section ACT1
variable {z0 : Nat} {σ : SG}
end ACT1


